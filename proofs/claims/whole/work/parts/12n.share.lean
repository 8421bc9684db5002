/-! Call share: the floats, without memory, and all of them by computation. -/
def spw (n : Nat) : Nat → UInt32
  | 0 => FP.fconst1
  | i + 1 => FP.fmul (spw n i) (FP.i2f (ii (n : Int)))
def srt (n : Nat) : Nat → UInt32
  | 0 => FP.i2f (ii (n : Int))
  | i + 1 => FP.fdiv (FP.fadd (srt n i) (FP.fdiv (FP.i2f (ii (n : Int))) (srt n i))) FP.fconst2
def shn (r : UInt32) : Bool := decide (r &&& 0x7fffffff ≤ 0x7f800000)
def SRN : Nat := 103517246596643297458864623699985516096130278309978626789059765876514659108633412646997545815902799155003988904648973770126418853605635108978674380642792351726997740877426159755805458050679771019894514858481630471081998444463725893312245314330083371732634680869683456941148483527790331809062654535099435090696240891228423430024429418910168838251079485786630352768142798462603759251123228010991218522174431812418723013738898583360412038482440964246581113360561284788964819561163097406189057590701008620482823216603247753564360126038354027128804751446249935119696345218316630168525168705536
def srT (n : Nat) : UInt32 := .ofNat (SRN / 2 ^ (32 * n) % 2 ^ 32)
def CWN : Nat := 28513814267867161686382885176137940911643761360439823433460717096215591495500862768395712939237755190319060424686160852600028537710609347011320381422949412822298899139876081081545483150113907149416538777444665048004570602128278547379613256680831183893240691172703644567880846916948619943704351173921103189209773715741844511557143514576025873379519372814494931101675586438484474343771552246768439379695545064976656125257731276001801980379493810098180214763142366661230685769659952767201653420676519398979054255745867975525059069423407237014384066672331320874532982484175344006432738951125782402181476191430974815810872865536905638658556714766786293243831469305843406772737445605187211959044676654637679265678636489093920325632
def cwT (d : Nat) : Int := if d = 0 then -1 else ((CWN / 2 ^ (10 * d) % 2 ^ 10 : Nat) : Int)
def shd (k n : Nat) : UInt32 := FP.fmul (FP.fmul FP.fconst2 (FP.fmul (spw n ((k - 2) / 2)) (srT n))) (FP.i2f (ii ((Lk k - 1 : Nat) : Int)))
def shv (k n : Nat) (x : Int64) : UInt32 := FP.fdiv (FP.l2f x) (shd k n)
def sdb (a : UInt32) : Nat → UInt32
  | 0 => a
  | i + 1 => FP.fmul (sdb a i) FP.fconst2
def sge (a : UInt32) : Bool := decide ((0 : Int32) ≤ Op.cmpValue (FP.fcmp a (1258291200 : UInt32)) .g)
def sfd (a : UInt32) : Nat → Nat → Nat
  | 0, i => i
  | m + 1, i => if sge (sdb a i) then i else sfd a m (i + 1)
def sbt (s : Int32) (a : UInt32) (r : Int32) : Bool := decide (sfd a 149 0 < 150) && sge (sdb a (sfd a 149 0)) && allb (fun i => !(sge (sdb a i)) && shn (sdb a (i + 1))) (sfd a 149 0) && decide (((s ||| (ii ((150 : Int) - (sfd a 149 0 : Int)) <<< ((23 : Int32) &&& 31))) ||| (FP.f2i (sdb a (sfd a 149 0)) - (8388608 : Int32))) = r)
def sbo (a : UInt32) : Bool := decide (Op.cmpValue (FP.fcmp a a) .l = (0 : Int32)) && (if Op.cmpValue (FP.fcmp a FP.fconst0) .l = (0 : Int32) then decide (a.toInt32 = (0 : Int32)) else if (0 : Int32) ≤ Op.cmpValue (FP.fcmp a FP.fconst0) .g then sbt (0 : Int32) a a.toInt32 else sbt (-2147483648 : Int32) (FP.fneg a) a.toInt32)
def sok1 (n : Nat) : Bool := allb (fun i => shn (FP.fdiv (FP.i2f (ii (n : Int))) (srt n i)) && shn (FP.fadd (srt n i) (FP.fdiv (FP.i2f (ii (n : Int))) (srt n i))) && shn (srt n (i + 1))) 20 && decide (srt n 20 = srT n)
def sok2 (k n : Nat) : Bool := allb (fun i => shn (spw n (i + 1))) ((k - 2) / 2) && shn (FP.fmul (spw n ((k - 2) / 2)) (srT n)) && shn (FP.fmul FP.fconst2 (FP.fmul (spw n ((k - 2) / 2)) (srT n))) && shn (shd k n)
def sok3 (k n : Nat) (x : Int64) : Bool := decide (¬ (lg_cmp x (-9223372036854775808 : Int64) = (0 : Int32))) && (decide (Lk k - 1 = 0) || (sok2 k n && shn (shv k n x) && sbo (shv k n x)))
def oSt (k n : Int) (r : Nat) : Nat → Option Int
  | 0 => some 0
  | i + 1 => oadd (oSt k n r i) (omul (oQ (-(r : Int) + (i : Int)) n (k - 3).toNat).2 (some (cwT (4 * n - (-(r : Int) + (i : Int)) * (-(r : Int) + (i : Int))).toNat)))
def trT (k n : Int) : Option Int := oD k n (oSt k n (rc n) (2 * rc n + 1)) n.toNat
def sok (k n : Nat) : Bool := match trT (k : Int) (n : Int) with
  | none => true
  | some s => sok3 k n (ll (-s) / (24 : Int64))
theorem sok1_all : allb (fun n => sok1 (n + 1)) 60 = true := by decide +kernel
theorem cw_all : allb (fun d => decide (cnW (d : Int) = cwT d)) 241 = true := by decide +kernel
theorem trT_eq {k n : Int} (hn : 1 ≤ n ∧ n ≤ 60) : trO k n = trT k n := by
  have r := rc_r hn
  have key : ∀ i : Nat, i ≤ 2 * rc n + 1 → oS k n i = oSt k n (rc n) i := by
    intro i
    induction i with
    | zero => intro _; rfl
    | succ i ih =>
      intro hi
      show oadd (oS k n i) (omul (oQ (-(rc n : Int) + (i : Int)) n (k - 3).toNat).2 (some (cnW (4 * n - (-(rc n : Int) + (i : Int)) * (-(rc n : Int) + (i : Int)))))) = oadd (oSt k n (rc n) i) (omul (oQ (-(rc n : Int) + (i : Int)) n (k - 3).toNat).2 (some (cwT (4 * n - (-(rc n : Int) + (i : Int)) * (-(rc n : Int) + (i : Int))).toNat)))
      rw [ih (by omega)]
      have hb : (-(rc n : Int) + (i : Int)) * (-(rc n : Int) + (i : Int)) ≤ (rc n : Int) * (rc n : Int) := by
        have h0 : ∀ x y : Int, -y ≤ x → x ≤ y → x * x ≤ y * y := fun x y h1 h2 => by
          rcases Int.le_total 0 x with q | q
          · exact Int.mul_le_mul h2 h2 q (by omega)
          · have := Int.mul_le_mul (a := -x) (b := -x) (c := y) (d := y) (by omega) (by omega) (by omega) (by omega)
            rw [Int.neg_mul_neg] at this
            exact this
        exact h0 _ _ (by omega) (by omega)
      have h0 : 0 ≤ (-(rc n : Int) + (i : Int)) * (-(rc n : Int) + (i : Int)) := by
        rcases Int.le_total 0 (-(rc n : Int) + (i : Int)) with q | q
        · exact Int.mul_nonneg q q
        · have := Int.mul_nonneg (a := -(-(rc n : Int) + (i : Int))) (b := -(-(rc n : Int) + (i : Int))) (by omega) (by omega)
          rw [Int.neg_mul_neg] at this
          exact this
      generalize (-(rc n : Int) + (i : Int)) * (-(rc n : Int) + (i : Int)) = y at *
      have c := of_decide_eq_true (allb_at cw_all (4 * n - y).toNat (by omega))
      rw [show (((4 * n - y).toNat : Nat) : Int) = 4 * n - y by omega] at c
      rw [c]
  unfold trO trT
  rw [key _ (Nat.le_refl _)]
