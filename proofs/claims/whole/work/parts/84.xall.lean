/-! every act, on both sides -/
section AL
variable {z : Nat → Nat} {h : Nat} {G : gM} {N k : Nat} {v : mS}
theorem al_0 (op : Nat) (hop : op < 37) (a1 a2 a3 a4 a5 : Int32) (hk : k < 512) (q : Inv z h k v G N) : OkN z h k N 0 (cSt z h op a1 a2 a3 a4 a5 (G, N, 0)) (mSt op a1 a2 a3 a4 a5 v) := by
  obtain ⟨A, M, I, T, J, rl, R, E⟩ := q
  match op, hop with
  | 0, _ => exact op_thing R E hk a1 a2 a3 a4 a5
  | 1, _ => exact (op_as R E a1 a2).n
  | 2, _ => exact (op_trait R E a1 a2 a3).n
  | 3, _ => exact (op_about R E a1 a2).n
  | 4, _ => exact op_day R E hk a1
  | 5, _ => exact (op_spoil R E a1).n
  | 6, _ => exact (op_known R E hk a1 a2).n
  | 7, _ => exact op_seeker R E a1
  | 8, _ => exact (op_word R E a1 a2 a3).n
  | 9, _ => exact (op_span R E a1 a2 a3).n
  | 10, _ => exact (op_points R E a1 a2).n
  | 11, _ => exact (op_likeness R E a1 a2).n
  | 12, _ => exact (op_chance R E a1 a2).n
  | 13, _ => exact (op_match R E a1).n
  | 14, _ => exact (op_seen R E a1 a2).n
  | 15, _ => exact op_answer R E hk a1 a2 a3
  | 16, _ => exact op_back R E hk a1
  | 17, _ => exact op_address R E a1 a2
  | 18, _ => exact (op_post R E a1 a2).n
  | 19, _ => exact (op_fits R E a1 a2 a3).n
  | 20, _ => exact (op_likely R E a1 a2 a3).n
  | 21, _ => exact (op_share R E a1 a2 a3).n
  | 22, _ => exact (op_law R E a1 a2).n
  | 23, _ => exact (op_sellable R E).n
  | 24, _ => exact op_sell R E hk a1 a2
  | 25, _ => exact (op_sold R E a1).n
  | 26, _ => exact (op_owed R E a1 a2 a3).n
  | 27, _ => exact op_lots R E a1 a2 a3 a4
  | 28, _ => exact (op_sorted R E a1 a2).n
  | 29, _ => exact (op_sorter R E a1 a2).n
  | 30, _ => exact (op_money R E a1 a2 a3).n
  | 31, _ => exact (op_counted R E a1).n
  | 32, _ => exact op_burst R E a1 a2 a3
  | 33, _ => exact (op_tell R E a1).n
  | 34, _ => exact (op_check R E).n
  | 35, _ => exact (op_count R E a1).n
  | 36, _ => exact (op_found R E a1).n
  | n + 37, hn => exact absurd hn (by omega)
theorem al_1 (op : Nat) (hop : op < 37) (a1 a2 a3 a4 a5 : Int32) (k : Nat) (v : mS) (G : gM) (N : Nat) (hk : k < 512) (q : Inv z h k v G N) : ∃ r v' u', mSt op a1 a2 a3 a4 a5 v = some (r, v') ∧ cSt z h op a1 a2 a3 a4 a5 (G, N, 0) = some (r, u') ∧ Inv z h (k + 1) v' u'.1 u'.2.1 ∧ u'.2.1 ≤ N + 64 ∧ u'.2.2 ≤ 1000 := by
  obtain ⟨r, v', u', h1, h2, h3, h4, h5⟩ := al_0 op hop a1 a2 a3 a4 a5 hk q
  exact ⟨r, v', u', h1, h2, h3, h4, by omega⟩
theorem al_mono (k : Nat) (v : mS) (G : gM) (N N' : Nat) (q : Inv z h k v G N) (hN : N ≤ N') : Inv z h k v G N' := by
  obtain ⟨A, M, I, T, J, rl, R, E⟩ := q
  exact ⟨A, M, I, T, J, rl, R.mono hN, E⟩
theorem al_up (k : Nat) (v : mS) (G : gM) (N : Nat) (q : Inv z h k v G N) : Inv z h (k + 1) v G N := by
  obtain ⟨A, M, I, T, J, rl, R, E⟩ := q
  exact ⟨A, M, I, T, J, rl, R, E.up⟩
theorem al_o (k : Nat) (v : mS) (G : gM) (N : Nat) (q : Inv z h k v G N) : ∃ oc, gO [10] G h = some oc := by
  obtain ⟨A, M, I, T, J, rl, R, E⟩ := q
  exact ⟨_, R.o10⟩
end AL
