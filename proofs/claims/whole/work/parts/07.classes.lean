abbrev vwCl : List vw_C := [(RJ0, TJ0, 2), (RJx00060, TJx00060, 6), (RX0, TX0, 10), (RX1, TX1, 10), (RX2, TX2, 10), (RX3, TX3, 4), (RX4, TX4, 1), (RX5, TX5, 7), (RX6, TX6, 5), (RX7, TX7, 16)]
