/-! pure: merging, the reference's side -/
def bkG (g : Nat → Int32) (q b : Nat) : Nat → Int32 := upd (if q = 60 then lgG (upd (shG g 354) 1426 (nI 59)) 59 2 (nI b) (mB g b 6) (mB g b 7) (mB g b 8) (mB g b 1) else lgG g q 2 (nI b) (mB g b 6) (mB g b 7) (mB g b 8) (mB g b 1)) (401 + 10 * b + 5) 0
theorem pz_back (M : CS) (g : Nat → Int32) (B : Int64) {q b : Nat} (hq : g 1426 = nI q) (h : q ≤ 60) (hb : b < 100) : S_X7_takesBack (mG M g B) (nI b) ∧ F_X7_takesBack (mG M g B) (nI b) = mG M (bkG g q b) (lgB B 2 (mB g b 6)) := by
  have hl := pz_logs M g B (kd := 2) (b := b) (mB g b 6) (mB g b 7) (mB g b 8) hq h (by omega) hb
  constructor
  · unfold S_X7_takesBack
    simp only [pz_bnd, pz_of6 hb, pz_of7 hb, pz_of8 hb, mG_g]
    exact ⟨pz_oS6 hb, pz_oS7 hb, pz_oS8 hb, hl.1, pz_setS 5 rfl hb (by omega), trivial⟩
  · unfold F_X7_takesBack
    simp only [pz_bnd, pz_of6 hb, pz_of7 hb, pz_of8 hb, mG_g, pz_set5 hb]
    rw [show (2 : Int32) = nI 2 from rfl, hl.2, mG_R, mG_g]
    rfl
theorem bkG_lo {g : Nat → Int32} {q b x : Nat} (hx : x < 1423) (hn : x ≠ 401 + 10 * b + 5) : bkG g q b x = g x := by
  unfold bkG
  rw [pz_updN hn]
  split
  · rw [lgG_lo hx, pz_updN (by omega)]
    exact if_neg (by omega)
  · rw [lgG_lo hx]
theorem lgG_cg {g g' : Nat → Int32} {q kd : Nat} {b r f l k : Int32} (h : ∀ x, 1423 ≤ x → g' x = g x) {x : Nat} (hx : 1423 ≤ x) : lgG g' q kd b r f l k x = lgG g q kd b r f l k x := by
  unfold lgG
  simp only [pz_upd]
  rw [h (1423 + kd) (by omega), h x hx]
theorem bkG_cg {g g' : Nat → Int32} {q b : Nat} (h : ∀ x, 1423 ≤ x → g' x = g x) (h6 : mB g' b 6 = mB g b 6) (h7 : mB g' b 7 = mB g b 7) (h8 : mB g' b 8 = mB g b 8) (h1 : mB g' b 1 = mB g b 1) (hb : b < 100) {x : Nat} (hx : 1423 ≤ x) : bkG g' q b x = bkG g q b x := by
  unfold bkG
  rw [h6, h7, h8, h1, pz_updN (by omega), pz_updN (by omega)]
  split
  · refine lgG_cg (fun y hy => ?_) hx
    by_cases c : y = 1426
    · subst c
      rw [pz_updE, pz_updE]
    · rw [pz_updN c, pz_updN c]
      unfold shG
      rw [h y hy, h (y + 6) (by omega)]
  · exact lgG_cg h hx
theorem bkG_f {g : Nat → Int32} {q b : Nat} : bkG g q b (401 + 10 * b + 5) = 0 := pz_updE _ _ _
def owG (g : Nat → Int32) (i l h : Nat) : Nat → Int32 := fun x => if x < 4 * i ∧ x % 4 = 3 ∧ g x = nI h then nI l else g x
def modG (g : Nat → Int32) (n l h : Nat) : Nat → Int32 := fun x => if x = 1422 then g 1422 + 1 else if x = 401 + 10 * h + 0 then 0 else if x = 401 + 10 * l + 3 then (if mB g l 3 ≤ mB g h 3 then mB g h 3 else mB g l 3) else if x = 401 + 10 * l + 2 then (if mB g h 2 ≤ mB g l 2 then mB g h 2 else mB g l 2) else owG g n l h x
theorem owG_0 (g : Nat → Int32) (l h : Nat) : owG g 0 l h = g := by
  funext x
  exact if_neg (by omega)
theorem owG_hi {g : Nat → Int32} {i l h x : Nat} (hx : 4 * i ≤ x) : owG g i l h x = g x := if_neg (by omega)
theorem owG_s {g : Nat → Int32} {i l h : Nat} : upd (owG g i l h) (4 * i + 3) (if g (4 * i + 3) = nI h then nI l else g (4 * i + 3)) = owG g (i + 1) l h := by
  funext x
  by_cases c : x = 4 * i + 3
  · subst c
    rw [pz_updE]
    unfold owG
    by_cases d : g (4 * i + 3) = nI h
    · rw [if_pos d, if_pos ⟨by omega, by omega, d⟩]
    · rw [if_neg d, if_neg (fun hh => d hh.2.2)]
  · rw [pz_updN c]
    unfold owG
    by_cases d : x < 4 * i ∧ x % 4 = 3 ∧ g x = nI h
    · rw [if_pos d, if_pos ⟨by omega, d.2⟩]
    · rw [if_neg d, if_neg (fun hh => d ⟨by omega, hh.2⟩)]
/-- the tail of a merge -/
def mtF (u20 : CS) (q2 : Int32) : CS := (bnd (F_X7_of u20 q2 5) (fun r21 => (if r21 = 1 then (bnd (F_X7_takesBack u20 q2) (fun u28 => (bnd (F_X7_sets u28 q2 0 0) (fun u30 => (bnd (sR u30 0 (upd (u30.1 0) 1422 ((u30.1 0 1422) + 1))) (fun u31 => u31)))))) else (bnd (F_X7_sets u20 q2 0 0) (fun u25 => (bnd (sR u25 0 (upd (u25.1 0) 1422 ((u25.1 0 1422) + 1))) (fun u26 => u26)))))))
def mtS (u20 : CS) (q2 : Int32) : Prop := (S_X7_of u20 q2 5 ∧ (bnd (F_X7_of u20 q2 5) (fun r21 => (if r21 = 1 then (S_X7_takesBack u20 q2 ∧ (bnd (F_X7_takesBack u20 q2) (fun u28 => (S_X7_sets u28 q2 0 0 ∧ True)))) else (S_X7_sets u20 q2 0 0 ∧ True)))))
theorem mt_eq (M : CS) (g : Nat → Int32) (B : Int64) {q b : Nat} (hq : g 1426 = nI q) (h : q ≤ 60) (hb : b < 100) : mtS (mG M g B) (nI b) ∧ mtF (mG M g B) (nI b) = (if mB g b 5 = 1 then mG M (upd (upd (bkG g q b) (401 + 10 * b + 0) 0) 1422 (g 1422 + 1)) (lgB B 2 (mB g b 6)) else mG M (upd (upd g (401 + 10 * b + 0) 0) 1422 (g 1422 + 1)) B) := by
  have hk := pz_back M g B hq h hb
  unfold mtS mtF
  simp only [pz_bnd, pz_of5 hb, mG_g]
  by_cases c : mB g b 5 = 1
  · simp only [if_pos c]
    rw [hk.2]
    simp only [pz_set0 hb, mG_R, mG_g]
    rw [pz_updN (show 1422 ≠ 401 + 10 * b + 0 by omega), bkG_lo (by omega) (by omega)]
    exact ⟨⟨pz_oS5 hb, hk.1, pz_setS 0 rfl hb (by omega), trivial⟩, rfl⟩
  · simp only [if_neg c]
    simp only [pz_set0 hb, mG_R, mG_g]
    rw [pz_updN (show 1422 ≠ 401 + 10 * b + 0 by omega)]
    exact ⟨⟨pz_oS5 hb, pz_setS 0 rfl hb (by omega), trivial⟩, rfl⟩
/-- the reference's merge, whole -/
theorem pz_merges (M : CS) (g : Nat → Int32) (B : Int64) {n q l h : Nat} (h4 : g 400 = nI n) (hn : n ≤ 100) (hq : g 1426 = nI q) (hq6 : q ≤ 60) (hl : l < 100) (hh : h < 100) (hlh : l < h) :
    S_X7_merges (mG M g B) (nI l) (nI h) ∧ F_X7_merges (mG M g B) (nI l) (nI h) = (if mB g h 5 = 1 then mG M (modG (bkG g q h) n l h) (lgB B 2 (mB g h 6)) else mG M (modG g n l h) B) := by
  -- the cells of the two after the owners have moved
  have w1 : ∀ b w, b < 100 → w < 10 → mB (owG g n l h) b w = mB g b w := fun b w _ _ => owG_hi (by omega)
  obtain ⟨a, ea⟩ : ∃ a, a = if mB g h 2 ≤ mB g l 2 then mB g h 2 else mB g l 2 := ⟨_, rfl⟩
  obtain ⟨c, ec⟩ : ∃ c, c = if mB g l 3 ≤ mB g h 3 then mB g h 3 else mB g l 3 := ⟨_, rfl⟩
  obtain ⟨g3, e3⟩ : ∃ g3, g3 = upd (upd (owG g n l h) (401 + 10 * l + 2) a) (401 + 10 * l + 3) c := ⟨_, rfl⟩
  have v : ∀ x, x ≠ 401 + 10 * l + 2 → x ≠ 401 + 10 * l + 3 → g3 x = owG g n l h x := fun x h1 h2 => by rw [e3, pz_updN h2, pz_updN h1]
  have vh : ∀ w, w < 10 → mB g3 h w = mB g h w := fun w hw => by
    unfold mB
    rw [v _ (by omega) (by omega), owG_hi (by omega)]
  have hq3 : g3 1426 = nI q := by rw [v _ (by omega) (by omega), owG_hi (by omega), hq]
  have h22 : g3 1422 = g 1422 := by rw [v _ (by omega) (by omega), owG_hi (by omega)]
  have hmt := mt_eq M g3 B (b := h) hq3 hq6 hh
  rw [vh 5 (by omega), vh 6 (by omega), h22] at hmt
  -- both ways of the tail are the change of the taken-back state
  have fin1 : upd (upd (bkG g3 q h) (401 + 10 * h + 0) 0) 1422 (g 1422 + 1) = modG (bkG g q h) n l h := by
    have k1 : ∀ w, w < 10 → w ≠ 5 → mB (bkG g q h) h w = mB g h w := fun w _ hw => bkG_lo (by omega) (by omega)
    have k2 : ∀ w, w < 10 → mB (bkG g q h) l w = mB g l w := fun w _ => bkG_lo (by omega) (by omega)
    funext x
    unfold modG
    rw [bkG_lo (by omega) (by omega), k1 2 (by omega) (by omega), k1 3 (by omega) (by omega), k2 2 (by omega), k2 3 (by omega)]
    by_cases c1 : x = 1422
    · subst c1
      rw [pz_updE, if_pos rfl]
    rw [pz_updN c1, if_neg c1]
    by_cases c2 : x = 401 + 10 * h + 0
    · subst c2
      rw [pz_updE, if_pos rfl]
    rw [pz_updN c2, if_neg c2]
    by_cases c3 : x = 401 + 10 * l + 3
    · subst c3
      rw [if_pos rfl, bkG_lo (by omega) (by omega), e3, pz_updE, ec]
    rw [if_neg c3]
    by_cases c4 : x = 401 + 10 * l + 2
    · subst c4
      rw [if_pos rfl, bkG_lo (by omega) (by omega), e3, pz_updN (by omega), pz_updE, ea]
    rw [if_neg c4]
    by_cases c5 : x = 401 + 10 * h + 5
    · subst c5
      rw [bkG_f, owG_hi (by omega), bkG_f]
    by_cases c6 : x < 1423
    · rw [bkG_lo c6 c5, v x c4 c3]
      unfold owG
      rw [bkG_lo c6 c5]
    · rw [owG_hi (by omega)]
      refine bkG_cg (fun y hy => ?_) (vh 6 (by omega)) (vh 7 (by omega)) (vh 8 (by omega)) (vh 1 (by omega)) hh (by omega)
      rw [v y (by omega) (by omega), owG_hi (by omega)]
  have fin2 : upd (upd g3 (401 + 10 * h + 0) 0) 1422 (g 1422 + 1) = modG g n l h := by
    funext x
    unfold modG
    by_cases c1 : x = 1422
    · subst c1
      rw [pz_updE, if_pos rfl]
    rw [pz_updN c1, if_neg c1]
    by_cases c2 : x = 401 + 10 * h + 0
    · subst c2
      rw [pz_updE, if_pos rfl]
    rw [pz_updN c2, if_neg c2]
    by_cases c3 : x = 401 + 10 * l + 3
    · subst c3
      rw [if_pos rfl, e3, pz_updE, ec]
    rw [if_neg c3]
    by_cases c4 : x = 401 + 10 * l + 2
    · subst c4
      rw [if_pos rfl, e3, pz_updN (by omega), pz_updE, ea]
    rw [if_neg c4, v x c4 c3]
  rw [fin1, fin2] at hmt
  unfold S_X7_merges F_X7_merges
  rw [mG_g, h4, pz_fu (by omega)]
  refine pz_bo (fun i s => s = (nI i, mG M (owG g i l h) B)) (fun x => x = (if mB g h 5 = 1 then mG M (modG (bkG g q h) n l h) (lgB B 2 (mB g h 6)) else mG M (modG g n l h) B)) n (fun i s hi hs => ?_) (fun s hs => ?_) n 0 (0, mG M g B) (by omega) (by rw [owG_0]; rfl)
  · subst hs
    show Sst_X7_merges_2 (nI l) (nI h) (nI i) (mG M (owG g i l h) B) ∧ ((∃ s', st_X7_merges_2 (nI l) (nI h) (nI i) (mG M (owG g i l h) B) = .inl s' ∧ _) ∨ _)
    unfold Sst_X7_merges_2 st_X7_merges_2
    have e4 : (mG M (owG g i l h) B).1 0 400 = nI n := (owG_hi (by omega)).trans h4
    have e5 : owG g i l h (4 * i + 3) = g (4 * i + 3) := owG_hi (by omega)
    rw [e4, if_neg (pz_ge hi (by omega)), if_neg (pz_ge hi (by omega)), pz_rc3 (by omega), mG_g, e5, pz_s1]
    refine ⟨⟨pz_rv3 (by omega), ?_⟩, .inl ⟨(nI (i + 1), mG M (owG g (i + 1) l h) B), ?_, rfl⟩⟩
    · split
      · exact ⟨pz_rv3 (by omega), trivial⟩
      · exact ⟨pz_rv3 (by omega), pz_rv3 (by omega), trivial⟩
    · rw [← owG_s]
      by_cases d : g (4 * i + 3) = nI h
      · rw [if_pos d, if_pos d, pz_bnd, mG_R]
      · rw [if_neg d, if_neg d, pz_bnd, mG_R]
  · subst hs
    show Sst_X7_merges_2 (nI l) (nI h) (nI n) (mG M (owG g n l h) B) ∧ ∃ x, st_X7_merges_2 (nI l) (nI h) (nI n) (mG M (owG g n l h) B) = .inr x ∧ _
    have e4 : (mG M (owG g n l h) B).1 0 400 = nI n := (owG_hi (by omega)).trans h4
    have t1 : Sst_X7_merges_2 (nI l) (nI h) (nI n) (mG M (owG g n l h) B) ↔ mtS (mG M g3 B) (nI h) := by
      unfold Sst_X7_merges_2 mtS
      rw [e4, if_pos (pz_leR n (by omega))]
      simp only [pz_bnd, pz_of2 hl, pz_of2 hh, pz_set2 hl, mG_R, mG_g, pz_of3 hl, pz_of3 hh, pz_set3 hl, w1 l 2 hl (by omega), w1 h 2 hh (by omega)]
      have m3 : ∀ z, mB (upd (owG g n l h) (401 + 10 * l + 2) z) l 3 = mB g l 3 := fun z => by
        unfold mB
        rw [pz_updN (by omega), owG_hi (by omega)]
      have m4 : ∀ z, mB (upd (owG g n l h) (401 + 10 * l + 2) z) h 3 = mB g h 3 := fun z => by
        unfold mB
        rw [pz_updN (by omega), owG_hi (by omega)]
      simp only [m3, m4]
      have z0 := pz_oS2 (M := mG M (owG g n l h) B) hl
      have z1 := pz_oS2 (M := mG M (owG g n l h) B) hh
      by_cases d1 : mB g h 2 ≤ mB g l 2
      · rw [if_pos d1] at ea ⊢
        subst ea
        by_cases d2 : mB g l 3 ≤ mB g h 3
        · rw [if_pos d2] at ec ⊢
          subst ec
          subst e3
          exact ⟨fun x => x.2.2.2.2.2.2.2.2, fun x => ⟨z0, z1, z1, pz_setS 2 rfl hl (by omega), pz_oS3 hl, pz_oS3 hh, pz_oS3 hh, pz_setS 3 rfl hl (by omega), x⟩⟩
        · rw [if_neg d2] at ec ⊢
          subst ec
          subst e3
          exact ⟨fun x => x.2.2.2.2.2.2.2.2, fun x => ⟨z0, z1, z1, pz_setS 2 rfl hl (by omega), pz_oS3 hl, pz_oS3 hh, pz_oS3 hl, pz_setS 3 rfl hl (by omega), x⟩⟩
      · rw [if_neg d1] at ea ⊢
        subst ea
        by_cases d2 : mB g l 3 ≤ mB g h 3
        · rw [if_pos d2] at ec ⊢
          subst ec
          subst e3
          exact ⟨fun x => x.2.2.2.2.2.2.2.2, fun x => ⟨z0, z1, z0, pz_setS 2 rfl hl (by omega), pz_oS3 hl, pz_oS3 hh, pz_oS3 hh, pz_setS 3 rfl hl (by omega), x⟩⟩
        · rw [if_neg d2] at ec ⊢
          subst ec
          subst e3
          exact ⟨fun x => x.2.2.2.2.2.2.2.2, fun x => ⟨z0, z1, z0, pz_setS 2 rfl hl (by omega), pz_oS3 hl, pz_oS3 hh, pz_oS3 hl, pz_setS 3 rfl hl (by omega), x⟩⟩
    have t2 : st_X7_merges_2 (nI l) (nI h) (nI n) (mG M (owG g n l h) B) = .inr (mtF (mG M g3 B) (nI h)) := by
      unfold st_X7_merges_2 mtF
      rw [e4, if_pos (pz_leR n (by omega))]
      simp only [pz_bnd, pz_of2 hl, pz_of2 hh, pz_set2 hl, mG_R, mG_g, pz_of3 hl, pz_of3 hh, pz_set3 hl, w1 l 2 hl (by omega), w1 h 2 hh (by omega)]
      have m3 : ∀ z, mB (upd (owG g n l h) (401 + 10 * l + 2) z) l 3 = mB g l 3 := fun z => by
        unfold mB
        rw [pz_updN (by omega), owG_hi (by omega)]
      have m4 : ∀ z, mB (upd (owG g n l h) (401 + 10 * l + 2) z) h 3 = mB g h 3 := fun z => by
        unfold mB
        rw [pz_updN (by omega), owG_hi (by omega)]
      simp only [m3, m4]
      by_cases d1 : mB g h 2 ≤ mB g l 2
      · rw [if_pos d1] at ea ⊢
        subst ea
        by_cases d2 : mB g l 3 ≤ mB g h 3
        · rw [if_pos d2] at ec ⊢
          subst ec
          subst e3
          split <;> rfl
        · rw [if_neg d2] at ec ⊢
          subst ec
          subst e3
          split <;> rfl
      · rw [if_neg d1] at ea ⊢
        subst ea
        by_cases d2 : mB g l 3 ≤ mB g h 3
        · rw [if_pos d2] at ec ⊢
          subst ec
          subst e3
          split <;> rfl
        · rw [if_neg d2] at ec ⊢
          subst ec
          subst e3
          split <;> rfl
    exact ⟨t1.mpr hmt.1, _, t2, hmt.2⟩
