theorem hk_z0 {G : hk_G} {M : hk_M} {d cb sb pc : Nat} {L : List (Option Value)} {st : List Value} {h : hk_H} {Q : hk_O → hk_H → Prop} (k : hk_S G M d (0 + cb) (0 + sb) pc L st h Q) : hk_S G M d cb sb pc L st h Q := by
  rw [Nat.zero_add, Nat.zero_add] at k
  exact k
section HW
variable {G : hk_G} {M : hk_M} {d cb sb pc : Nat} {L : List (Option Value)} {st : List Value} {h : hk_H} {Q : hk_O → hk_H → Prop}
theorem hs_newi {n : Int32} {N : Nat} (hd : decode M.2.1 pc = .ok (.newarray .int, 2)) (hnN : n.toInt = (N : Int)) (hb : N ≤ 1000000) (kk : hk_S G M d cb sb (pc + 2) L (.ref h.1 :: st) (hk_new h (.inl (0, N, .inl (fun _ => 0)))) Q) : hk_S G M d (cb + 1) (sb + N) pc L (.int n :: st) h Q :=
  hs_newa (t := 0) (ty := .int) (x := .inl (fun _ => 0)) hd rfl wd_73 rfl (fun _ _ => rfl) (fun _ => rfl) hnN (by have : componentBytes .int = 4 := rfl; rw [this]; omega) kk
theorem hs_newl {n : Int32} {N : Nat} (hd : decode M.2.1 pc = .ok (.newarray .long, 2)) (hnN : n.toInt = (N : Int)) (hb : N ≤ 1000000) (kk : hk_S G M d cb sb (pc + 2) L (.ref h.1 :: st) (hk_new h (.inl (1, N, .inr (.inl (fun _ => 0))))) Q) : hk_S G M d (cb + 1) (sb + N) pc L (.int n :: st) h Q :=
  hs_newa (t := 1) (ty := .long) (x := .inr (.inl (fun _ => 0))) hd rfl wd_195 rfl (fun _ _ => rfl) (fun _ => rfl) hnN (by have : componentBytes .long = 8 := rfl; rw [this]; omega) kk
theorem hs_newz {n : Int32} {N : Nat} (hd : decode M.2.1 pc = .ok (.newarray .boolean, 2)) (hnN : n.toInt = (N : Int)) (hb : N ≤ 1000000) (kk : hk_S G M d cb sb (pc + 2) L (.ref h.1 :: st) (hk_new h (.inl (2, N, .inl (fun _ => 0)))) Q) : hk_S G M d (cb + 1) (sb + N) pc L (.int n :: st) h Q :=
  hs_newa (t := 2) (ty := .boolean) (x := .inl (fun _ => 0)) hd rfl wd_124 rfl (fun _ _ => rfl) (fun _ => rfl) hnN (by have : componentBytes .boolean = 1 := rfl; rw [this]; omega) kk
end HW
