/-! what a call of read must say, while it is open -/
def SimRd : Prop := ∀ {C M : CS}, Rel C M → S_X6_read C ∧ S_X7_read M ∧ SimI ["java/lang/IllegalArgumentException", "java/lang/IllegalStateException"] (F_X6_read C).1 (F_X7_read M).1 ((F_X7_read M).2.2.1 0) ∧ Rel (F_X6_read C).2 (F_X7_read M).2
