/-! The class's memory: the object at b, all it is made of behind it, the reference at b + 286. -/
def rfo (l : List (Option Nat)) (b : Nat) : Nat → Option (Option Nat) := fun k => match l[k]? with
  | some (some o) => some (some (b + o))
  | _ => none
def xoX : List (Option Nat) := [some 1, none, none, none, some 2, some 15, some 24, some 39, some 40, some 135, some 155, some 233, some 235]
def xoO : List (Option Nat) := [some 136, some 137, some 143, some 149, none, none]
def xoD : List (Option Nat) := [none, none, none, some 156, some 169, some 170, none, some 174, some 193, some 212, some 231]
def xoK : List (Option Nat) := [some 171, some 172, some 173, none]
/-- a row of forms at G -/
def fg (S : SS) (G n : Nat) : Prop := S G = some (.inr (.inr (.inl (.object "HeckeSeries$Form", n, fun i => if i < n then some (G + 1 + 2 * i) else none)))) ∧ ∀ i, i < n → fm S (G + 1 + 2 * i) (G + 2 + 2 * i)
def rSh (q r : Nat) : Nat → Option (Option Nat) := fun k => if k = 1 then some (some q) else if k = 2 then some (some r) else none
/-- two shelves at G -/
def sg (S : SS) (G : Nat) : Prop := S G = some (.inr (.inr (.inl (.object "HeckeSeries$Shelf", 2, fun i => if i < 2 then some (G + 1 + 7 * i) else none)))) ∧ ∀ s, s < 2 → S (G + 1 + 7 * s) = some (.inl (4, 3, rSh (G + 2 + 7 * s) (G + 3 + 7 * s))) ∧ S (G + 2 + 7 * s) = some (.inr (.inl (.boolean, 4))) ∧ S (G + 3 + 7 * s) = some (.inr (.inr (.inl (.array .long, 4, fun r => if r < 4 then some (G + 3 + 7 * s + 1 + r) else none)))) ∧ ∀ r, r < 4 → S (G + 3 + 7 * s + 1 + r) = some (.inr (.inl (.long, 13)))
/-- n rows of k ints at q -/
def ar (S : SS) (q n k : Nat) : Prop := S q = some (.inr (.inr (.inl (.array .int, n, fun i => if i < n then some (q + 1 + i) else none)))) ∧ ∀ i, i < n → S (q + 1 + i) = some (.inr (.inl (.int, k)))
def LX (S : SS) (b : Nat) : Prop := S b = some (.inl (8, 13, rfo xoX b)) ∧ S (b + 135) = some (.inl (3, 6, rfo xoO b)) ∧ S (b + 155) = some (.inl (0, 11, rfo xoD b)) ∧ S (b + 170) = some (.inl (7, 4, rfo xoK b)) ∧ S (b + 1) = some (.inr (.inl (.byte, 600))) ∧ fg S (b + 2) 6 ∧ fg S (b + 15) 4 ∧ sg S (b + 24) ∧ S (b + 39) = some (.inr (.inr (.inl (.object "HeckeSeries$Image", 2, fun i => if i < 2 then some (b + 236 + 25 * i) else none)))) ∧ (∀ k, k < 2 → S (b + 236 + 25 * k) = some (.inl (2, 3, rSh (b + 237 + 25 * k) (b + 246 + 25 * k))) ∧ fg S (b + 237 + 25 * k) 4 ∧ sg S (b + 246 + 25 * k)) ∧ LSp S b ∧ (∀ i, i < 31 → S (b + 44 + 3 * i) = some (.inr (.inl (.int, 6)))) ∧ S (b + 136) = some (.inr (.inl (.int, 6))) ∧ ar S (b + 137) 5 5 ∧ ar S (b + 143) 5 5 ∧ ar S (b + 149) 5 5 ∧ fg S (b + 156) 6 ∧ S (b + 169) = some (.inr (.inl (.int, 6))) ∧ S (b + 171) = some (.inr (.inl (.int, 601))) ∧ S (b + 172) = some (.inr (.inl (.int, 601))) ∧ S (b + 173) = some (.inr (.inl (.int, 601))) ∧ fg S (b + 174) 9 ∧ fg S (b + 193) 9 ∧ fg S (b + 212) 9 ∧ fm S (b + 231) (b + 232) ∧ fm S (b + 233) (b + 234) ∧ S (b + 235) = some (.inr (.inl (.long, 12))) ∧ LM S (b + 286) ∧ S (b + 320) = some (.inr (.inl (.long, 1)))
theorem L_oX {S : SS} {b : Nat} (h : LX S b) : S b = some (.inl (8, 13, rfo xoX b)) := h.1
theorem L_oO {S : SS} {b : Nat} (h : LX S b) : S (b + 135) = some (.inl (3, 6, rfo xoO b)) := h.2.1
theorem L_oD {S : SS} {b : Nat} (h : LX S b) : S (b + 155) = some (.inl (0, 11, rfo xoD b)) := h.2.2.1
theorem L_oK {S : SS} {b : Nat} (h : LX S b) : S (b + 170) = some (.inl (7, 4, rfo xoK b)) := h.2.2.2.1
theorem L_tape {S : SS} {b : Nat} (h : LX S b) : S (b + 1) = some (.inr (.inl (.byte, 600))) := h.2.2.2.2.1
theorem L_lets {S : SS} {b : Nat} (h : LX S b) : fg S (b + 2) 6 := h.2.2.2.2.2.1
theorem L_regs {S : SS} {b : Nat} (h : LX S b) : fg S (b + 15) 4 := h.2.2.2.2.2.2.1
theorem L_shv {S : SS} {b : Nat} (h : LX S b) : sg S (b + 24) := h.2.2.2.2.2.2.2.1
theorem L_imga {S : SS} {b : Nat} (h : LX S b) : S (b + 39) = some (.inr (.inr (.inl (.object "HeckeSeries$Image", 2, fun i => if i < 2 then some (b + 236 + 25 * i) else none)))) := h.2.2.2.2.2.2.2.2.1
theorem L_img {S : SS} {b : Nat} (h : LX S b) : (∀ k, k < 2 → S (b + 236 + 25 * k) = some (.inl (2, 3, rSh (b + 237 + 25 * k) (b + 246 + 25 * k))) ∧ fg S (b + 237 + 25 * k) 4 ∧ sg S (b + 246 + 25 * k)) := h.2.2.2.2.2.2.2.2.2.1
theorem L_sps {S : SS} {b : Nat} (h : LX S b) : LSp S b := h.2.2.2.2.2.2.2.2.2.2.1
theorem L_rts {S : SS} {b : Nat} (h : LX S b) : (∀ i, i < 31 → S (b + 44 + 3 * i) = some (.inr (.inl (.int, 6)))) := h.2.2.2.2.2.2.2.2.2.2.2.1
theorem L_pol {S : SS} {b : Nat} (h : LX S b) : S (b + 136) = some (.inr (.inl (.int, 6))) := h.2.2.2.2.2.2.2.2.2.2.2.2.1
theorem L_tab {S : SS} {b : Nat} (h : LX S b) : ar S (b + 137) 5 5 := h.2.2.2.2.2.2.2.2.2.2.2.2.2.1
theorem L_wrk {S : SS} {b : Nat} (h : LX S b) : ar S (b + 143) 5 5 := h.2.2.2.2.2.2.2.2.2.2.2.2.2.2.1
theorem L_prd {S : SS} {b : Nat} (h : LX S b) : ar S (b + 149) 5 5 := h.2.2.2.2.2.2.2.2.2.2.2.2.2.2.2.1
theorem L_rl {S : SS} {b : Nat} (h : LX S b) : fg S (b + 156) 6 := h.2.2.2.2.2.2.2.2.2.2.2.2.2.2.2.2.1
theorem L_nam {S : SS} {b : Nat} (h : LX S b) : S (b + 169) = some (.inr (.inl (.int, 6))) := h.2.2.2.2.2.2.2.2.2.2.2.2.2.2.2.2.2.1
theorem L_knd {S : SS} {b : Nat} (h : LX S b) : S (b + 171) = some (.inr (.inl (.int, 601))) := h.2.2.2.2.2.2.2.2.2.2.2.2.2.2.2.2.2.2.1
theorem L_plc {S : SS} {b : Nat} (h : LX S b) : S (b + 172) = some (.inr (.inl (.int, 601))) := h.2.2.2.2.2.2.2.2.2.2.2.2.2.2.2.2.2.2.2.1
theorem L_val {S : SS} {b : Nat} (h : LX S b) : S (b + 173) = some (.inr (.inl (.int, 601))) := h.2.2.2.2.2.2.2.2.2.2.2.2.2.2.2.2.2.2.2.2.1
theorem L_sum {S : SS} {b : Nat} (h : LX S b) : fg S (b + 174) 9 := h.2.2.2.2.2.2.2.2.2.2.2.2.2.2.2.2.2.2.2.2.2.1
theorem L_pro {S : SS} {b : Nat} (h : LX S b) : fg S (b + 193) 9 := h.2.2.2.2.2.2.2.2.2.2.2.2.2.2.2.2.2.2.2.2.2.2.1
theorem L_pow {S : SS} {b : Nat} (h : LX S b) : fg S (b + 212) 9 := h.2.2.2.2.2.2.2.2.2.2.2.2.2.2.2.2.2.2.2.2.2.2.2.1
theorem L_bas {S : SS} {b : Nat} (h : LX S b) : fm S (b + 231) (b + 232) := h.2.2.2.2.2.2.2.2.2.2.2.2.2.2.2.2.2.2.2.2.2.2.2.2.1
theorem L_scr {S : SS} {b : Nat} (h : LX S b) : fm S (b + 233) (b + 234) := h.2.2.2.2.2.2.2.2.2.2.2.2.2.2.2.2.2.2.2.2.2.2.2.2.2.1
theorem L_frt {S : SS} {b : Nat} (h : LX S b) : S (b + 235) = some (.inr (.inl (.long, 12))) := h.2.2.2.2.2.2.2.2.2.2.2.2.2.2.2.2.2.2.2.2.2.2.2.2.2.2.1
theorem L_mod {S : SS} {b : Nat} (h : LX S b) : LM S (b + 286) := h.2.2.2.2.2.2.2.2.2.2.2.2.2.2.2.2.2.2.2.2.2.2.2.2.2.2.2.1
theorem L_out {S : SS} {b : Nat} (h : LX S b) : S (b + 320) = some (.inr (.inl (.long, 1))) := h.2.2.2.2.2.2.2.2.2.2.2.2.2.2.2.2.2.2.2.2.2.2.2.2.2.2.2.2
section X
variable {S : SS} {A B : ZA} {n : (Nat × Nat) × (Nat → Nat)} {b k i s r G N q : Nat} {v : Int}
theorem Xv (h : LX S b) : jrecv (mz S A B n) (b) 8 = some () := jrecv_z (L_oX h)
theorem XR0 (h : LX S b) : jgR (mz S A B n) (b) 8 0 = some (b + 1) := jgR_z (L_oX h) (by decide) rfl
theorem XI1 (h : LX S b) : jgI (mz S A B n) (b) 8 1 = some (ii (A (b) 1)) := jgI_z (L_oX h) (by decide) rfl
theorem XP1 (h : LX S b) : jput (mz S A B n) (b) 8 1 (.int (ii v)) = some (mz S (za A (b) (up (A (b)) 1 v)) B n) := jput_z (L_oX h) (by decide) rfl
theorem XI2 (h : LX S b) : jgI (mz S A B n) (b) 8 2 = some (ii (A (b) 2)) := jgI_z (L_oX h) (by decide) rfl
theorem XP2 (h : LX S b) : jput (mz S A B n) (b) 8 2 (.int (ii v)) = some (mz S (za A (b) (up (A (b)) 2 v)) B n) := jput_z (L_oX h) (by decide) rfl
theorem XI3 (h : LX S b) : jgI (mz S A B n) (b) 8 3 = some (ii (A (b) 3)) := jgI_z (L_oX h) (by decide) rfl
theorem XP3 (h : LX S b) : jput (mz S A B n) (b) 8 3 (.int (ii v)) = some (mz S (za A (b) (up (A (b)) 3 v)) B n) := jput_z (L_oX h) (by decide) rfl
theorem XR4 (h : LX S b) : jgR (mz S A B n) (b) 8 4 = some (b + 2) := jgR_z (L_oX h) (by decide) rfl
theorem XR5 (h : LX S b) : jgR (mz S A B n) (b) 8 5 = some (b + 15) := jgR_z (L_oX h) (by decide) rfl
theorem XR6 (h : LX S b) : jgR (mz S A B n) (b) 8 6 = some (b + 24) := jgR_z (L_oX h) (by decide) rfl
theorem XR7 (h : LX S b) : jgR (mz S A B n) (b) 8 7 = some (b + 39) := jgR_z (L_oX h) (by decide) rfl
theorem XR8 (h : LX S b) : jgR (mz S A B n) (b) 8 8 = some (b + 40) := jgR_z (L_oX h) (by decide) rfl
theorem XR9 (h : LX S b) : jgR (mz S A B n) (b) 8 9 = some (b + 135) := jgR_z (L_oX h) (by decide) rfl
theorem XR10 (h : LX S b) : jgR (mz S A B n) (b) 8 10 = some (b + 155) := jgR_z (L_oX h) (by decide) rfl
theorem XR11 (h : LX S b) : jgR (mz S A B n) (b) 8 11 = some (b + 233) := jgR_z (L_oX h) (by decide) rfl
theorem XR12 (h : LX S b) : jgR (mz S A B n) (b) 8 12 = some (b + 235) := jgR_z (L_oX h) (by decide) rfl
theorem Ov (h : LX S b) : jrecv (mz S A B n) (b + 135) 3 = some () := jrecv_z (L_oO h)
theorem OR0 (h : LX S b) : jgR (mz S A B n) (b + 135) 3 0 = some (b + 136) := jgR_z (L_oO h) (by decide) rfl
theorem OR1 (h : LX S b) : jgR (mz S A B n) (b + 135) 3 1 = some (b + 137) := jgR_z (L_oO h) (by decide) rfl
theorem OR2 (h : LX S b) : jgR (mz S A B n) (b + 135) 3 2 = some (b + 143) := jgR_z (L_oO h) (by decide) rfl
theorem OR3 (h : LX S b) : jgR (mz S A B n) (b + 135) 3 3 = some (b + 149) := jgR_z (L_oO h) (by decide) rfl
theorem OI4 (h : LX S b) : jgI (mz S A B n) (b + 135) 3 4 = some (ii (A (b + 135) 4)) := jgI_z (L_oO h) (by decide) rfl
theorem OP4 (h : LX S b) : jput (mz S A B n) (b + 135) 3 4 (.int (ii v)) = some (mz S (za A (b + 135) (up (A (b + 135)) 4 v)) B n) := jput_z (L_oO h) (by decide) rfl
theorem OI5 (h : LX S b) : jgI (mz S A B n) (b + 135) 3 5 = some (ii (A (b + 135) 5)) := jgI_z (L_oO h) (by decide) rfl
theorem OP5 (h : LX S b) : jput (mz S A B n) (b + 135) 3 5 (.int (ii v)) = some (mz S (za A (b + 135) (up (A (b + 135)) 5 v)) B n) := jput_z (L_oO h) (by decide) rfl
theorem Dv (h : LX S b) : jrecv (mz S A B n) (b + 155) 0 = some () := jrecv_z (L_oD h)
theorem DI0 (h : LX S b) : jgI (mz S A B n) (b + 155) 0 0 = some (ii (A (b + 155) 0)) := jgI_z (L_oD h) (by decide) rfl
theorem DP0 (h : LX S b) : jput (mz S A B n) (b + 155) 0 0 (.int (ii v)) = some (mz S (za A (b + 155) (up (A (b + 155)) 0 v)) B n) := jput_z (L_oD h) (by decide) rfl
theorem DI1 (h : LX S b) : jgI (mz S A B n) (b + 155) 0 1 = some (ii (A (b + 155) 1)) := jgI_z (L_oD h) (by decide) rfl
theorem DP1 (h : LX S b) : jput (mz S A B n) (b + 155) 0 1 (.int (ii v)) = some (mz S (za A (b + 155) (up (A (b + 155)) 1 v)) B n) := jput_z (L_oD h) (by decide) rfl
theorem DI2 (h : LX S b) : jgI (mz S A B n) (b + 155) 0 2 = some (ii (A (b + 155) 2)) := jgI_z (L_oD h) (by decide) rfl
theorem DP2 (h : LX S b) : jput (mz S A B n) (b + 155) 0 2 (.int (ii v)) = some (mz S (za A (b + 155) (up (A (b + 155)) 2 v)) B n) := jput_z (L_oD h) (by decide) rfl
theorem DR3 (h : LX S b) : jgR (mz S A B n) (b + 155) 0 3 = some (b + 156) := jgR_z (L_oD h) (by decide) rfl
theorem DR4 (h : LX S b) : jgR (mz S A B n) (b + 155) 0 4 = some (b + 169) := jgR_z (L_oD h) (by decide) rfl
theorem DR5 (h : LX S b) : jgR (mz S A B n) (b + 155) 0 5 = some (b + 170) := jgR_z (L_oD h) (by decide) rfl
theorem DI6 (h : LX S b) : jgI (mz S A B n) (b + 155) 0 6 = some (ii (A (b + 155) 6)) := jgI_z (L_oD h) (by decide) rfl
theorem DP6 (h : LX S b) : jput (mz S A B n) (b + 155) 0 6 (.int (ii v)) = some (mz S (za A (b + 155) (up (A (b + 155)) 6 v)) B n) := jput_z (L_oD h) (by decide) rfl
theorem DR7 (h : LX S b) : jgR (mz S A B n) (b + 155) 0 7 = some (b + 174) := jgR_z (L_oD h) (by decide) rfl
theorem DR8 (h : LX S b) : jgR (mz S A B n) (b + 155) 0 8 = some (b + 193) := jgR_z (L_oD h) (by decide) rfl
theorem DR9 (h : LX S b) : jgR (mz S A B n) (b + 155) 0 9 = some (b + 212) := jgR_z (L_oD h) (by decide) rfl
theorem DR10 (h : LX S b) : jgR (mz S A B n) (b + 155) 0 10 = some (b + 231) := jgR_z (L_oD h) (by decide) rfl
theorem Kv (h : LX S b) : jrecv (mz S A B n) (b + 170) 7 = some () := jrecv_z (L_oK h)
theorem KR0 (h : LX S b) : jgR (mz S A B n) (b + 170) 7 0 = some (b + 171) := jgR_z (L_oK h) (by decide) rfl
theorem KR1 (h : LX S b) : jgR (mz S A B n) (b + 170) 7 1 = some (b + 172) := jgR_z (L_oK h) (by decide) rfl
theorem KR2 (h : LX S b) : jgR (mz S A B n) (b + 170) 7 2 = some (b + 173) := jgR_z (L_oK h) (by decide) rfl
theorem KI3 (h : LX S b) : jgI (mz S A B n) (b + 170) 7 3 = some (ii (A (b + 170) 3)) := jgI_z (L_oK h) (by decide) rfl
theorem KP3 (h : LX S b) : jput (mz S A B n) (b + 170) 7 3 (.int (ii v)) = some (mz S (za A (b + 170) (up (A (b + 170)) 3 v)) B n) := jput_z (L_oK h) (by decide) rfl
theorem fgR (h : fg S G N) (hi : i < N) (hN : N < 100) : jaR (mz S A B n) G (ii (i : Int)) = some (G + 1 + 2 * i) := by rw [jaR_n h.1 rfl hi (by omega), if_pos hi]
theorem arR (h : ar S q N k) (hi : i < N) (hN : N < 100) : jaR (mz S A B n) q (ii (i : Int)) = some (q + 1 + i) := by rw [jaR_n h.1 rfl hi (by omega), if_pos hi]
theorem arA {j : Nat} (h : ar S q N k) (hi : i < N) (hk : k < 100) (hj : j < k) : jaI (mz S A B n) (q + 1 + i) (ii (j : Int)) = some (ii (A (q + 1 + i) j)) := jaI_n (h.2 i hi) hj (by omega)
theorem arS {j : Nat} (h : ar S q N k) (hi : i < N) (hk : k < 100) (hj : j < k) : jsI (mz S A B n) (q + 1 + i) (ii (j : Int)) (ii v) = some (mz S (za A (q + 1 + i) (up (A (q + 1 + i)) j v)) B n) := jsI_v (h.2 i hi) hj (by omega)
theorem sgR (h : sg S G) (hs : s < 2) : jaR (mz S A B n) G (ii (s : Int)) = some (G + 1 + 7 * s) := by rw [jaR_n h.1 rfl hs (by omega), if_pos hs]
theorem sgv (h : sg S G) (hs : s < 2) : jrecv (mz S A B n) (G + 1 + 7 * s) 4 = some () := jrecv_z (h.2 s hs).1
theorem sgI (h : sg S G) (hs : s < 2) : jgI (mz S A B n) (G + 1 + 7 * s) 4 0 = some (ii (A (G + 1 + 7 * s) 0)) := jgI_z (h.2 s hs).1 (by decide) rfl
theorem sgP (h : sg S G) (hs : s < 2) : jput (mz S A B n) (G + 1 + 7 * s) 4 0 (.int (ii v)) = some (mz S (za A (G + 1 + 7 * s) (up (A (G + 1 + 7 * s)) 0 v)) B n) := jput_z (h.2 s hs).1 (by decide) rfl
theorem sgR1 (h : sg S G) (hs : s < 2) : jgR (mz S A B n) (G + 1 + 7 * s) 4 1 = some (G + 2 + 7 * s) := jgR_z (h.2 s hs).1 (by decide) rfl
theorem sgR2 (h : sg S G) (hs : s < 2) : jgR (mz S A B n) (G + 1 + 7 * s) 4 2 = some (G + 3 + 7 * s) := jgR_z (h.2 s hs).1 (by decide) rfl
theorem sgF (h : sg S G) (hs : s < 2) (hk : k < 4) : jaB (mz S A B n) (G + 2 + 7 * s) (ii (k : Int)) = some (ii (A (G + 2 + 7 * s) k)) := jaB_nb (h.2 s hs).2.1 hk (by omega)
theorem sgFs (h : sg S G) (hs : s < 2) (hk : k < 4) (hv : v = 0 ∨ v = 1) : jsB (mz S A B n) (G + 2 + 7 * s) (ii (k : Int)) (ii v) = some (mz S (za A (G + 2 + 7 * s) (up (A (G + 2 + 7 * s)) k v)) B n) := jsB_zb (h.2 s hs).2.1 rfl hk (by omega) hv
theorem sgRR (h : sg S G) (hs : s < 2) (hr : r < 4) : jaR (mz S A B n) (G + 3 + 7 * s) (ii (r : Int)) = some (G + 3 + 7 * s + 1 + r) := by rw [jaR_n (h.2 s hs).2.2.1 rfl hr (by omega), if_pos hr]
theorem sgJ (h : sg S G) (hs : s < 2) (hr : r < 4) (hk : k < 13) : jaJ (mz S A B n) (G + 3 + 7 * s + 1 + r) (ii (k : Int)) = some (ll (B (G + 3 + 7 * s + 1 + r) k)) := jaJ_n ((h.2 s hs).2.2.2 r hr) hk (by omega)
theorem sgJs (h : sg S G) (hs : s < 2) (hr : r < 4) (hk : k < 13) : jsJ (mz S A B n) (G + 3 + 7 * s + 1 + r) (ii (k : Int)) (ll v) = some (mz S A (za B (G + 3 + 7 * s + 1 + r) (up (B (G + 3 + 7 * s + 1 + r)) k v)) n) := jsJ_v ((h.2 s hs).2.2.2 r hr) hk (by omega)
theorem imR (h : LX S b) (hk : k < 2) : jaR (mz S A B n) (b + 39) (ii (k : Int)) = some (b + 236 + 25 * k) := by rw [jaR_n (L_imga h) rfl hk (by omega), if_pos hk]
theorem imv (h : LX S b) (hk : k < 2) : jrecv (mz S A B n) (b + 236 + 25 * k) 2 = some () := jrecv_z (L_img h k hk).1
theorem imI (h : LX S b) (hk : k < 2) : jgI (mz S A B n) (b + 236 + 25 * k) 2 0 = some (ii (A (b + 236 + 25 * k) 0)) := jgI_z (L_img h k hk).1 (by decide) rfl
theorem imP (h : LX S b) (hk : k < 2) : jput (mz S A B n) (b + 236 + 25 * k) 2 0 (.int (ii v)) = some (mz S (za A (b + 236 + 25 * k) (up (A (b + 236 + 25 * k)) 0 v)) B n) := jput_z (L_img h k hk).1 (by decide) rfl
theorem imR1 (h : LX S b) (hk : k < 2) : jgR (mz S A B n) (b + 236 + 25 * k) 2 1 = some (b + 237 + 25 * k) := jgR_z (L_img h k hk).1 (by decide) rfl
theorem imR2 (h : LX S b) (hk : k < 2) : jgR (mz S A B n) (b + 236 + 25 * k) 2 2 = some (b + 246 + 25 * k) := jgR_z (L_img h k hk).1 (by decide) rfl
end X
theorem mtab_o {o : Nat} {t : FieldType} {N : Nat} (h : (o, t, N) ∈ mtab) : o ≤ 33 := by
  have key : ∀ x ∈ mtab, x.1 ≤ 33 := by decide
  exact key _ h
theorem LX_of {S S' : SS} {b : Nat} (h : LX S b) (he : ∀ x, b ≤ x → x < b + 321 → (∀ i, i < 31 → x ≠ b + 42 + 3 * i) → S' x = S x) : LX S' b := by
  have e : ∀ x, b ≤ x → x < b + 42 ∨ b + 135 ≤ x → x < b + 321 → S' x = S x := fun x h1 h2 h3 => he x h1 h3 (fun i hi => by omega)
  have hfm : ∀ f g, b ≤ f → f < b + 42 ∨ b + 135 ≤ f → f < b + 321 → b ≤ g → g < b + 42 ∨ b + 135 ≤ g → g < b + 321 → fm S f g → fm S' f g := fun f g a1 a2 a3 a4 a5 a6 q => ⟨by rw [e f a1 a2 a3]; exact q.1, by rw [e g a4 a5 a6]; exact q.2⟩
  have hfg : ∀ G n, b ≤ G → G + 2 * n < b + 42 ∨ b + 135 ≤ G → G + 2 * n < b + 321 → fg S G n → fg S' G n := fun G n a1 a2 a3 q => ⟨by rw [e G a1 (by omega) (by omega)]; exact q.1, fun i hi => hfm _ _ (by omega) (by omega) (by omega) (by omega) (by omega) (by omega) (q.2 i hi)⟩
  have hsg : ∀ G, b ≤ G → G + 14 < b + 42 ∨ b + 135 ≤ G → G + 14 < b + 321 → sg S G → sg S' G := fun G a1 a2 a3 q => ⟨by rw [e G a1 (by omega) (by omega)]; exact q.1, fun s hs => ⟨by rw [e _ (by omega) (by omega) (by omega)]; exact (q.2 s hs).1, by rw [e _ (by omega) (by omega) (by omega)]; exact (q.2 s hs).2.1, by rw [e _ (by omega) (by omega) (by omega)]; exact (q.2 s hs).2.2.1, fun r hr => by rw [e _ (by omega) (by omega) (by omega)]; exact (q.2 s hs).2.2.2 r hr⟩⟩
  have har : ∀ q n k, b + 135 ≤ q → q + n < b + 321 → ar S q n k → ar S' q n k := fun q n k a1 a2 z => ⟨by rw [e _ (by omega) (by omega) (by omega)]; exact z.1, fun i hi => by rw [e _ (by omega) (by omega) (by omega)]; exact z.2 i hi⟩
  refine ⟨by rw [e _ (by omega) (by omega) (by omega)]; exact L_oX h, by rw [e _ (by omega) (by omega) (by omega)]; exact L_oO h, by rw [e _ (by omega) (by omega) (by omega)]; exact L_oD h, by rw [e _ (by omega) (by omega) (by omega)]; exact L_oK h, by rw [e _ (by omega) (by omega) (by omega)]; exact L_tape h, hfg _ _ (by omega) (by omega) (by omega) (L_lets h), hfg _ _ (by omega) (by omega) (by omega) (L_regs h), hsg _ (by omega) (by omega) (by omega) (L_shv h), by rw [e _ (by omega) (by omega) (by omega)]; exact L_imga h, fun k hk => ⟨by rw [e _ (by omega) (by omega) (by omega)]; exact (L_img h k hk).1, hfg _ _ (by omega) (by omega) (by omega) (L_img h k hk).2.1, hsg _ (by omega) (by omega) (by omega) (L_img h k hk).2.2⟩, ⟨by rw [e _ (by omega) (by omega) (by omega)]; exact (L_sps h).1, by rw [e _ (by omega) (by omega) (by omega)]; exact (L_sps h).2⟩, fun i hi => by rw [he _ (by omega) (by omega) (fun j _ => by omega)]; exact L_rts h i hi, by rw [e _ (by omega) (by omega) (by omega)]; exact L_pol h, har _ _ _ (by omega) (by omega) (L_tab h), har _ _ _ (by omega) (by omega) (L_wrk h), har _ _ _ (by omega) (by omega) (L_prd h), hfg _ _ (by omega) (by omega) (by omega) (L_rl h), by rw [e _ (by omega) (by omega) (by omega)]; exact L_nam h, by rw [e _ (by omega) (by omega) (by omega)]; exact L_knd h, by rw [e _ (by omega) (by omega) (by omega)]; exact L_plc h, by rw [e _ (by omega) (by omega) (by omega)]; exact L_val h, hfg _ _ (by omega) (by omega) (by omega) (L_sum h), hfg _ _ (by omega) (by omega) (by omega) (L_pro h), hfg _ _ (by omega) (by omega) (by omega) (L_pow h), hfm _ _ (by omega) (by omega) (by omega) (by omega) (by omega) (by omega) (L_bas h), hfm _ _ (by omega) (by omega) (by omega) (by omega) (by omega) (by omega) (L_scr h), by rw [e _ (by omega) (by omega) (by omega)]; exact L_frt h, ⟨by rw [e _ (by omega) (by omega) (by omega)]; exact (L_mod h).1, fun o t N hm => by rw [e _ (by omega) (by omega) (by have : o ≤ 33 := mtab_o hm; omega)]; exact (L_mod h).2 o t N hm⟩, by rw [e _ (by omega) (by omega) (by omega)]; exact L_out h⟩
