abbrev Ent : Type := Int32 × Int32 × Int32
def tot : List Ent → Int32
  | [] => 0
  | e :: es => 3 * tot es + e.2.2 + e.1
def hd : List Ent → Ent
  | [] => (0, 0, 0)
  | e :: _ => e
def mx (x y : Int32) : Int32 := if x < y then y else x
def mn (x y : Int32) : Int32 := if y < x then y else x
def fmod (x y : Int32) : Int32 := if x ^^^ y < 0 ∧ ¬ x - x / y * y = 0 then x - x / y * y + y else x - x / y * y
def fse : List Ent → Int32 → List Ent
  | [], _ => []
  | e :: es, c => if c < nI (es.length + 1) then fse es c else e :: es
def gno : List Ent → Int32 → Int32 → Int32
  | [], w, g => if (0 : Int32) = w then mx g 0 else g
  | e :: es, w, g => gno es w (if e.1 = w then mx g e.2.1 else g)
def fnd : List Ent → Int32 → Int32 → Option (List Ent)
  | [], c, n => if (0 : Int32) = c ∧ (0 : Int32) = n then some [] else none
  | e :: es, c, n => if e.1 = c ∧ e.2.1 = n then some (e :: es) else fnd es c n
abbrev Msg : Type := Int32 × Nat × Nat × Int32 × Int32 × (Nat → Int32) × List Ent × Int32
abbrev mK (m : Msg) : Int32 := m.1
abbrev mS (m : Msg) : Nat := m.2.1
abbrev mD (m : Msg) : Nat := m.2.2.1
abbrev mV (m : Msg) : Int32 := m.2.2.2.1
abbrev mL (m : Msg) : Int32 := m.2.2.2.2.1
abbrev mX (m : Msg) : Nat → Int32 := m.2.2.2.2.2.1
abbrev mG (m : Msg) : List Ent := m.2.2.2.2.2.2.1
abbrev mC (m : Msg) : Int32 := m.2.2.2.2.2.2.2
abbrev KM : Type := Nat → Option Msg
abbrev RS : Type := Int32 × Int32 × Int32 × List Ent × Int32 × (Nat → Int32) × (Nat → Int32) × Int32 × KM × KM × KM × Int32
abbrev rS (R : RS) : Int32 := R.1
abbrev rV (R : RS) : Int32 := R.2.1
abbrev rL (R : RS) : Int32 := R.2.2.1
abbrev rG (R : RS) : List Ent := R.2.2.2.1
abbrev rC (R : RS) : Int32 := R.2.2.2.2.1
abbrev rX (R : RS) : Nat → Int32 := R.2.2.2.2.2.1
abbrev rA (R : RS) : Nat → Int32 := R.2.2.2.2.2.2.1
abbrev rP (R : RS) : Int32 := R.2.2.2.2.2.2.2.1
abbrev rO (R : RS) : KM := R.2.2.2.2.2.2.2.2.1
abbrev rE (R : RS) : KM := R.2.2.2.2.2.2.2.2.2.1
abbrev rR (R : RS) : KM := R.2.2.2.2.2.2.2.2.2.2.1
abbrev rN (R : RS) : Int32 := R.2.2.2.2.2.2.2.2.2.2.2
def mkM (R : RS) (i : Nat) (kind : Int32) (d : Nat) : Msg := (kind, i, d, rV R, rL R, rX R, rG R, rC R)
def cnt (k : KM) : Nat → Int32
  | 0 => 0
  | t + 1 => if (k t).isSome then cnt k t + 1 else cnt k t
def gvw (k : KM) : Nat → Int32
  | 0 => 0
  | t + 1 => match k t with
    | none => gvw k t
    | some m => mx (gvw k t) (mV m)
def rse (v w : Nat → Int32) : Nat → Int32 := fun t => mx (v t) (w t)
def drp (k : KM) (v : Nat → Int32) : KM := fun t => match k t with
  | none => none
  | some m => if mX m t < v t then none else some m
def cak (a : Nat → Int32) (e : Int32) : Nat → Int32
  | 0 => 0
  | t + 1 => if e ≤ a t then cak a e t + 1 else cak a e t
def akb (a : Nat → Int32) (N : Nat) (enough c0 : Int32) : Nat → Int32
  | 0 => c0
  | t + 1 => if akb a N enough c0 t < a t ∧ enough ≤ cak a (a t) N then a t else akb a N enough c0 t
def bst (k : KM) (b0 : List Ent × Int32 × Int32) : Nat → List Ent × Int32 × Int32
  | 0 => b0
  | t + 1 => match k t with
    | none => bst k b0 t
    | some m => if (bst k b0 t).2.1 < mL m ∨ (mL m = (bst k b0 t).2.1 ∧ nI (bst k b0 t).1.length < nI (mG m).length)
      then (mG m, mL m, mx (bst k b0 t).2.2 (mC m))
      else ((bst k b0 t).1, (bst k b0 t).2.1, mx (bst k b0 t).2.2 (mC m))
def noK : KM := fun _ => none
def r_fresh (R : RS) : RS := (rS R, 0, 0, [], 0, fun _ => 0, fun _ => 0, 0, noK, noK, noK, rN R)
def r_normal (R : RS) (v : Int32) (lg : List Ent) (c : Int32) : RS := (0, v, v, lg, c, rX R, rA R, rP R, noK, noK, noK, rN R)
def r_best (R : RS) (N : Nat) : List Ent × Int32 × Int32 := bst (rE R) (rG R, rL R, rC R) N
def r_primary (R : RS) (N : Nat) : RS := (0, rV R, rV R, (r_best R N).1, (r_best R N).2.2, rX R, fun _ => 0, rP R, noK, noK, noK, rN R)
def r_raise (R : RS) (w : Nat → Int32) : RS := (rS R, rV R, rL R, rG R, rC R, rse (rX R) w, rA R, rP R, drp (rO R) (rse (rX R) w), drp (rE R) (rse (rX R) w), drp (rR R) (rse (rX R) w), rN R)
abbrev GS : Type := Nat × Int32 × (Nat → Msg) × (Nat → Int32) × (Nat → Int32) × (Nat → RS)
abbrev gT (S : GS) : Nat := S.1
abbrev gL (S : GS) : Int32 := S.2.1
abbrev gM (S : GS) : Nat → Msg := S.2.2.1
abbrev gN (S : GS) : Nat → Int32 := S.2.2.2.1
abbrev gA (S : GS) : Nat → Int32 := S.2.2.2.2.1
abbrev gR (S : GS) : Nat → RS := S.2.2.2.2.2
def g_rep (S : GS) (i : Nat) (R : RS) : GS := (gT S, gL S, gM S, gN S, gA S, va_up (gR S) i R)
def g_send (S : GS) (i : Nat) (kind : Int32) (d : Nat) : GS := (gT S + 1, gL S, va_up (gM S) (gT S) (mkM (gR S i) i kind d), gN S, gA S, gR S)
def g_all (S : GS) (i : Nat) (kind : Int32) : Nat → GS
  | 0 => S
  | t + 1 => if t = i then g_all S i kind t else g_send (g_all S i kind t) i kind t
def g_ans (S : GS) (es : List Ent) : GS :=
  if gN S (hd es).1.toNatClampNeg ≤ (hd es).2.1 then (gT S, gL S, gM S, va_up (gN S) (hd es).1.toNatClampNeg (hd es).2.1, va_up (gA S) (hd es).1.toNatClampNeg (tot es), gR S) else S
def g_anss (es : List Ent) : Nat → Int32 → GS → GS
  | 0, _, S => S
  | n + 1, c, S => g_anss es n (c + 1) (g_ans S (fse es c))
def prim (N : Nat) (v : Int32) : Nat := (fmod v (nI N)).toNatClampNeg
abbrev leads (N : Nat) (R : RS) (i : Nat) : Prop := rS R = 0 ∧ fmod (rV R) (nI N) = nI i
def g_reply (S : GS) (i : Nat) (m : Msg) (kind : Int32) : GS := if rS (gR S i) = 0 then g_send S i kind (mS m) else S
def r_put (R : RS) (m : Msg) : RS := if nI (mG m).length = nI (rG R).length + 1 then (rS R, rV R, rL R, hd (mG m) :: rG R, R.2.2.2.2) else R
def r_com (R : RS) (c : Int32) : RS := (rS R, rV R, rL R, rG R, c, R.2.2.2.2.2)
def g_prep (S : GS) (i : Nat) (m : Msg) : GS :=
  if mV m < rV (gR S i) then S
  else if ¬ (mV m = rV (gR S i) ∧ rS (gR S i) = 0) ∨ nI (rG (gR S i)).length + 1 < nI (mG m).length then g_send S i 3 (mS m)
  else g_send (g_rep S i (r_com (r_put (gR S i) m) (mx (rC (gR S i)) (mn (mC m) (nI (rG (r_put (gR S i) m)).length))))) i 2 (mS m)
def r_ack (R : RS) (m : Msg) : RS := (rS R, rV R, rL R, rG R, rC R, rX R, va_up (rA R) (mS m) (mx (rA R (mS m)) (nI (mG m).length)), R.2.2.2.2.2.2.2)
def g_ok (N : Nat) (S : GS) (i : Nat) (m : Msg) : GS :=
  if ¬ leads N (gR S i) i ∨ ¬ mV m = rV (gR S i) then S
  else g_anss (rG (gR S i)) ((mn (akb (rA (r_ack (gR S i) m)) N (nI (N / 2)) (rC (gR S i)) N) (nI (rG (gR S i)).length)).toInt - (rC (gR S i)).toInt).toNat (rC (gR S i) + 1)
    (g_rep S i (r_com (r_ack (gR S i) m) (akb (rA (r_ack (gR S i) m)) N (nI (N / 2)) (rC (gR S i)) N)))
def g_state (N : Nat) (S : GS) (i : Nat) (m : Msg) : GS :=
  if fmod (mV m) (nI N) = nI i then S
  else if rV (gR S i) < mV m ∨ (mV m = rV (gR S i) ∧ (rS (gR S i) = 1 ∨ nI (rG (gR S i)).length < nI (mG m).length)) then
    g_send (g_rep S i (r_normal (gR S i) (mV m) (mG m) (mx (rC (gR S i)) (mC m)))) i 2 (prim N (mV m))
  else S
def r_start (R : RS) (v : Int32) : RS := (1, v, rL R, rG R, rC R, rX R, rA R, 0, noK, noK, noK, rN R)
def g_start (N : Nat) (S : GS) (i : Nat) (v : Int32) : GS := g_all (g_rep S i (r_start (gR S i) v)) i 5 N
def g_join (N : Nat) (S : GS) (i : Nat) (m : Msg) : GS := if rV (gR S i) < mV m then g_start N S i (mV m) else S
abbrev joined (S : GS) (i : Nat) (m : Msg) : Prop := mV m = rV (gR S i) ∧ rS (gR S i) = 1
def r_vote (R : RS) (m : Msg) : RS := (rS R, rV R, rL R, rG R, rC R, rX R, rA R, rP R, va_up (rO R) (mS m) (some m), rE R, rR R, rN R)
def r_pap (R : RS) (m : Msg) : RS := (rS R, rV R, rL R, rG R, rC R, rX R, rA R, rP R, rO R, va_up (rE R) (mS m) (some m), rR R, rN R)
def r_resp (R : RS) (m : Msg) : RS := (rS R, rV R, rL R, rG R, rC R, rX R, rA R, rP R, rO R, rE R, va_up (rR R) (mS m) (some m), rN R)
def r_sent (R : RS) : RS := (rS R, rV R, rL R, rG R, rC R, rX R, rA R, 1, rO R, rE R, rR R, rN R)
def g_vote (N : Nat) (S : GS) (i : Nat) (m : Msg) : GS :=
  if ¬ nI i = fmod (rV (gR S i)) (nI N) ∧ rP (gR S i) = 0 ∧ nI (N / 2) ≤ cnt (rO (r_vote (gR S i) m)) N then
    g_rep (g_send (g_rep S i (r_vote (gR S i) m)) i 6 (prim N (rV (gR S i)))) i (r_sent (r_vote (gR S i) m))
  else g_rep S i (r_vote (gR S i) m)
def g_paper (N : Nat) (S : GS) (i : Nat) (m : Msg) : GS :=
  if nI (N / 2) ≤ cnt (rE (r_pap (gR S i) m)) N then g_all (g_rep S i (r_primary (r_pap (gR S i) m) N)) i 4 N else g_rep S i (r_pap (gR S i) m)
def r_reco (N : Nat) (R : RS) : RS :=
  if cnt (rR R) N ≤ nI (N / 2) then R
  else match rR R (prim N (gvw (rR R) N)) with
    | none => R
    | some L => if mV L = gvw (rR R) N then r_normal R (gvw (rR R) N) (mG L) (mC L) else R
abbrev hears (R : RS) (m : Msg) : Prop := ¬ rS R = 3 ∧ (rS R = 2 ↔ mK m = 8)
abbrev outdated (R : RS) (m : Msg) (i : Nat) : Prop := mX m (mS m) < rX R (mS m) ∨ (mK m = 8 ∧ ¬ mX m i = rX R i)
def g_kind (N : Nat) (S : GS) (i : Nat) (m : Msg) : GS :=
  if mK m = 1 then g_prep S i m
  else if mK m = 2 then g_ok N S i m
  else if mK m = 3 then g_reply S i m 4
  else if mK m = 4 then g_state N S i m
  else if mK m = 5 then (if mV m = rV (gR (g_join N S i m) i) ∧ rS (gR (g_join N S i m) i) = 1 then g_vote N (g_join N S i m) i m else g_join N S i m)
  else if mK m = 6 then (if mV m = rV (gR (g_join N S i m) i) ∧ rS (gR (g_join N S i m) i) = 1 then g_paper N (g_join N S i m) i m else g_join N S i m)
  else if mK m = 7 then g_reply S i m 8
  else if mK m = 8 then g_rep S i (r_reco N (r_resp (gR S i) m))
  else S
def g_recv (N : Nat) (S : GS) (m : Msg) : Int32 × GS :=
  if ¬ (¬ rS (gR S (mD m)) = 3 ∧ (rS (gR S (mD m)) = 2 ↔ mK m = 8)) then (0, S)
  else if mX m (mS m) < rX (gR S (mD m)) (mS m) ∨ (mK m = 8 ∧ ¬ mX m (mD m) = rX (gR S (mD m)) (mD m)) then (1, S)
  else (2, g_kind N (g_rep S (mD m) (r_raise (gR S (mD m)) (mX m))) (mD m) m)
section FMOD
variable {N : Nat}
theorem nN0 (hN : N = 3 ∨ N = 5) : ¬ nI N = 0 := by
  rcases hN with rfl | rfl <;> decide
theorem xr_n {a b : Nat} (ha : a < 2 ^ 31) (hb : b < 2 ^ 31) : ¬ (nI a ^^^ nI b < 0) := by
  have hm : ∀ c : Nat, c < 2 ^ 31 → (nI c).toBitVec.msb = false := fun c hc => by
    rw [BitVec.msb_eq_toInt]
    have h := nI_toInt hc
    exact decide_eq_false (by show ¬ (nI c).toInt < 0; omega)
  intro h
  rw [Int32.lt_iff_toInt_lt, show (0 : Int32).toInt = 0 from by decide] at h
  have h1 : (nI a ^^^ nI b).toBitVec.msb = true := by
    rw [BitVec.msb_eq_toInt]
    exact decide_eq_true h
  rw [Int32.toBitVec_xor, BitVec.msb_xor, hm a ha, hm b hb] at h1
  cases h1
theorem fm_64 {T : Nat} (hT : T < 2 ^ 31) : fmod (nI T) 64 = nI (T % 64) := by
  show fmod (nI T) (nI 64) = _
  rw [fmod, pk_rem hT (by decide) (by decide), if_neg (fun q => xr_n hT (by decide) q.1)]
theorem fm_N {T : Nat} (hT : T < 2 ^ 31) (hN : N = 3 ∨ N = 5) : fmod (nI T) (nI N) = nI (T % N) := by
  rcases hN with rfl | rfl
  · rw [fmod, pk_rem hT (by decide) (by decide), if_neg (fun q => xr_n hT (by decide) q.1)]
  · rw [fmod, pk_rem hT (by decide) (by decide), if_neg (fun q => xr_n hT (by decide) q.1)]
end FMOD
