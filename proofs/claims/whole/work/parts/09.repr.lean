theorem hup_a (f : HF) (a : Nat) (c : PC) (b : Nat) : hup f a c b = if b = a then some c else f b := rfl
theorem hup_hup (f : HF) (a : Nat) (c c' : PC) : hup (hup f a c) a c' = hup f a c' := by
  funext b
  simp only [hup_a]
  split <;> rfl
def Ext (f f' : HF) : Prop := ∀ a c, f a = some c → f' a = some c
theorem ext_r (f : HF) : Ext f f := fun _ _ h => h
theorem Ext.trans {f g h : HF} (h1 : Ext f g) (h2 : Ext g h) : Ext f h := fun a c q => h2 a c (h1 a c q)
theorem Ext.new {f : HF} {q : Nat} {c : PC} (hq : f q = none) : Ext f (hup f q c) := fun a c' h => by
  have : a ≠ q := fun e => by rw [e, hq] at h; cases h
  rw [hup_n this]
  exact h
def b24 (x : Int32) : Prop := ∃ c : Nat, c ≤ 24 ∧ x = nI c
theorem b24_0 : b24 0 := ⟨0, by omega, rfl⟩
theorem b24_mx {x y : Int32} (hx : b24 x) (hy : b24 y) : b24 (mx x y) := by
  unfold mx
  split
  · exact hy
  · exact hx
theorem b24_mn {x y : Int32} (hx : b24 x) (hy : b24 y) : b24 (mn x y) := by
  unfold mn
  split
  · exact hy
  · exact hx
def LogR (Z : Nat → Prop) (f : HF) : List Ent → Nat → Prop
  | [], a => ¬ Z a ∧ f a = some (.inl (0, [.null, .int 0, .int 0, .int 0, .int 0, .int 0]))
  | e :: es, a => ¬ Z a ∧ es.length < 24 ∧ (∃ c : Nat, c < 4 ∧ e.1 = nI c) ∧ ∃ b, f a = some (.inl (0, [.ref b, .int (nI (es.length + 1)), .int e.1, .int e.2.1, .int e.2.2, .int (tot (e :: es))])) ∧ LogR Z f es b
theorem LogR.fm {Z : Nat → Prop} {f f' : HF} (hF : ∀ a c, ¬ Z a → f a = some c → f' a = some c) : ∀ {es : List Ent} {a : Nat}, LogR Z f es a → LogR Z f' es a
  | [], _, h => ⟨h.1, hF _ _ h.1 h.2⟩
  | _ :: _, _, ⟨hz, hl, hc, b, h1, h2⟩ => ⟨hz, hl, hc, b, hF _ _ hz h1, LogR.fm hF h2⟩
theorem LogR.len {Z : Nat → Prop} {f : HF} {es : List Ent} {a : Nat} (h : LogR Z f es a) : es.length ≤ 24 := by
  cases es with
  | nil => exact Nat.zero_le _
  | cons e es => exact h.2.1
theorem LogR.cl {Z : Nat → Prop} {f : HF} {es : List Ent} {a : Nat} (h : LogR Z f es a) : ∃ c : Nat, c < 4 ∧ (hd es).1 = nI c := by
  cases es with
  | nil => exact ⟨0, by omega, rfl⟩
  | cons e es => exact h.2.2.1
theorem LogR.nz {Z : Nat → Prop} {f : HF} {es : List Ent} {a : Nat} (h : LogR Z f es a) : ¬ Z a := by
  cases es with
  | nil => exact h.1
  | cons e es => exact h.1
theorem LogR.cell {Z : Nat → Prop} {f : HF} {es : List Ent} {a : Nat} (h : LogR Z f es a) : ∃ b, f a = some (.inl (0, [va_rf b, .int (nI es.length), .int (hd es).1, .int (hd es).2.1, .int (hd es).2.2, .int (tot es)])) := by
  cases es with
  | nil => exact ⟨none, h.2⟩
  | cons e es =>
    obtain ⟨-, -, -, b, h1, -⟩ := h
    exact ⟨some b, h1⟩
def VecR (Z : Nat → Prop) (f : HF) (N a : Nat) (v : Nat → Int32) : Prop := ¬ Z a ∧ ∃ g, f a = some (.inr (.inl (0, N, g))) ∧ ∀ t, t < N → g t = v t
theorem VecR.fm {Z : Nat → Prop} {f f' : HF} {N a : Nat} {v : Nat → Int32} (hF : ∀ a c, ¬ Z a → f a = some c → f' a = some c) (h : VecR Z f N a v) : VecR Z f' N a v := by
  obtain ⟨hz, g, h1, h2⟩ := h
  exact ⟨hz, g, hF _ _ hz h1, h2⟩
def MsgR (Z : Nat → Prop) (f : HF) (N a : Nat) (m : Msg) : Prop := ¬ Z a ∧ ∃ va la, f a = some (.inl (1, [.int (mK m), .int (nI (mS m)), .int (nI (mD m)), .int (mV m), .int (mL m), .ref va, .ref la, .int (mC m)])) ∧
  VecR Z f N va (mX m) ∧ LogR Z f (mG m) la ∧ mS m < N ∧ mD m < N ∧ b24 (mC m)
theorem MsgR.fm {Z : Nat → Prop} {f f' : HF} {N a : Nat} {m : Msg} (hF : ∀ a c, ¬ Z a → f a = some c → f' a = some c) (h : MsgR Z f N a m) : MsgR Z f' N a m := by
  obtain ⟨hz, va, la, h1, h2, h3, h4⟩ := h
  exact ⟨hz, va, la, hF _ _ hz h1, h2.fm hF, h3.fm hF, h4⟩
def OptR (Z : Nat → Prop) (f : HF) (N : Nat) : Option Nat → Option Msg → Prop
  | none, none => True
  | some q, some m => MsgR Z f N q m
  | none, some _ => False
  | some _, none => False
theorem OptR.fm {Z : Nat → Prop} {f f' : HF} {N : Nat} (hF : ∀ a c, ¬ Z a → f a = some c → f' a = some c) : ∀ {o : Option Nat} {m : Option Msg}, OptR Z f N o m → OptR Z f' N o m
  | none, none, _ => trivial
  | some _, some _, h => MsgR.fm hF h
  | none, some _, h => h.elim
  | some _, none, h => h.elim
def KepC (Z : Nat → Prop) (f : HF) (cs : Nat → PC) (N k : Nat) (km : KM) : Prop := ∃ g, cs k = .inr (.inr (2, N, g)) ∧ ∀ t, t < N → OptR Z f N (g t) (km t)
def AckC (cs : Nat → PC) (N k : Nat) (v : Nat → Int32) : Prop := ∃ g, cs k = .inr (.inl (0, N, g)) ∧ ∀ t, t < N → g t = v t
abbrev robj (A : Nat → Nat) (i la va : Nat) (R : RS) : List Value := [.int (nI i), .int (rS R), .int (rV R), .int (rL R), .ref la, .int (rC R), .ref va, .ref (A (6 + 5 * i)), .int (rP R), .ref (A (7 + 5 * i)), .ref (A (8 + 5 * i)), .ref (A (9 + 5 * i)), .int (rN R)]
def RepC (Z : Nat → Prop) (f : HF) (A : Nat → Nat) (N : Nat) (cs : Nat → PC) (i : Nat) (R : RS) : Prop := ∃ la va, cs (5 + 5 * i) = .inl (2, robj A i la va R) ∧ LogR Z f (rG R) la ∧ VecR Z f N va (rX R) ∧ AckC cs N (6 + 5 * i) (rA R) ∧
  KepC Z f cs N (7 + 5 * i) (rO R) ∧ KepC Z f cs N (8 + 5 * i) (rE R) ∧ KepC Z f cs N (9 + 5 * i) (rR R) ∧ b24 (rC R) ∧ ∀ t, t < N → b24 (rA R t)
def W5 (i k : Nat) : Prop := k = 5 + 5 * i ∨ k = 6 + 5 * i ∨ k = 7 + 5 * i ∨ k = 8 + 5 * i ∨ k = 9 + 5 * i
theorem KepC.fm {Z : Nat → Prop} {f f' : HF} {cs cs' : Nat → PC} {N k : Nat} {km : KM} (hF : Ext f f') (hk : cs' k = cs k) (h : KepC Z f cs N k km) : KepC Z f' cs' N k km := by
  obtain ⟨g, h1, h2⟩ := h
  exact ⟨g, hk.trans h1, fun t ht => (h2 t ht).fm (fun a c _ q => hF a c q)⟩
theorem AckC.fm {cs cs' : Nat → PC} {N k : Nat} {v : Nat → Int32} (hk : cs' k = cs k) (h : AckC cs N k v) : AckC cs' N k v := by
  obtain ⟨g, h1, h2⟩ := h
  exact ⟨g, hk.trans h1, h2⟩
theorem RepC.fm {Z : Nat → Prop} {f f' : HF} {A : Nat → Nat} {N : Nat} {cs cs' : Nat → PC} {i : Nat} {R : RS} (hF : Ext f f') (hk : ∀ k, W5 i k → cs' k = cs k) (h : RepC Z f A N cs i R) : RepC Z f' A N cs' i R := by
  obtain ⟨la, va, h1, h2, h3, h4, h5, h6, h7, h8⟩ := h
  exact ⟨la, va, (hk _ (Or.inl rfl)).trans h1, h2.fm (fun a c _ q => hF a c q), h3.fm (fun a c _ q => hF a c q), h4.fm (hk _ (Or.inr (Or.inl rfl))), h5.fm hF (hk _ (Or.inr (Or.inr (Or.inl rfl)))), h6.fm hF (hk _ (Or.inr (Or.inr (Or.inr (Or.inl rfl))))), h7.fm hF (hk _ (Or.inr (Or.inr (Or.inr (Or.inr rfl))))), h8⟩
def GRc (Z : Nat → Prop) (f : HF) (A : Nat → Nat) (N : Nat) (cs : Nat → PC) (S : GS) : Prop :=
  cs 0 = .inl (3, [.int (nI N), .int (nI (N / 2)), .ref (A 1), .ref (A 2), .int (nI (gT S)), .int (gL S), .ref (A 3), .ref (A 4)]) ∧
  (∃ g, cs 1 = .inr (.inr (3, N, g)) ∧ ∀ i, i < N → g i = some (A (5 + 5 * i))) ∧
  (∃ g, cs 2 = .inr (.inr (2, 64, g)) ∧ ∀ k, k < gT S → gT S ≤ k + 64 → ∃ q, g (k % 64) = some q ∧ MsgR Z f N q (gM S k)) ∧
  AckC cs 4 3 (gN S) ∧ AckC cs 4 4 (gA S) ∧ ∀ i, i < N → RepC Z f A N cs i (gR S i)
def En (Z : Nat → Prop) (A : Nat → Nat) (N : Nat) (f : HF) : Prop := AI (5 + 5 * N) A ∧ (∀ a, isA (5 + 5 * N) A a → Z a) ∧ ∀ a, Z a → isA (5 + 5 * N) A a ∨ ¬ f a = none
theorem En.ext {Z : Nat → Prop} {A : Nat → Nat} {N : Nat} {f f' : HF} (h : En Z A N f) (hF : Ext f f') : En Z A N f' := by
  refine ⟨h.1, h.2.1, fun a ha => (h.2.2 a ha).imp_right (fun n q => n ?_)⟩
  cases e : f a with
  | none => rfl
  | some c => rw [hF a c e] at q; cases q
theorem En.im {Z : Nat → Prop} {A : Nat → Nat} {N : Nat} {f : HF} {cs : Nat → PC} (h : En Z A N f) : ∀ a c, ¬ Z a → f a = some c → hC (5 + 5 * N) A f cs a = some c := fun a c hz hc => by
  rw [hC_no (fun q => hz (h.2.1 a q))]
  exact hc
theorem En.no {Z : Nat → Prop} {A : Nat → Nat} {N : Nat} {f : HF} {cs : Nat → PC} {q : Nat} (h : En Z A N f) (hq : hC (5 + 5 * N) A f cs q = none) : ¬ Z q ∧ f q = none := by
  obtain ⟨h1, h2⟩ := hC_none hq
  exact ⟨fun hz => (h.2.2 q hz).elim h1 (fun n => n h2), h2⟩
theorem GRc.rep {Z : Nat → Prop} {f f' : HF} {A : Nat → Nat} {N i : Nat} {cs cs' : Nat → PC} {S : GS} {R : RS} (hN : N ≤ 5) (hi : i < N) (hG : GRc Z f A N cs S) (hF : Ext f f') (hk : ∀ k, ¬ W5 i k → cs' k = cs k) (hR : RepC Z f' A N cs' i R) : GRc Z f' A N cs' (g_rep S i R) := by
  obtain ⟨h0, ⟨g1, h1, h1'⟩, ⟨g2, h2, h2'⟩, h3, h4, h5⟩ := hG
  have nw : ∀ k, k < 5 → ¬ W5 i k := fun k h => by simp only [W5]; omega
  refine ⟨(hk 0 (nw 0 (by omega))).trans h0, ⟨g1, (hk 1 (nw 1 (by omega))).trans h1, h1'⟩, ⟨g2, (hk 2 (nw 2 (by omega))).trans h2, fun k hk1 hk2 => ?_⟩, h3.fm (hk 3 (nw 3 (by omega))), h4.fm (hk 4 (nw 4 (by omega))), fun j hj => ?_⟩
  · obtain ⟨q, hq, hm⟩ := h2' k hk1 hk2
    exact ⟨q, hq, hm.fm (fun a c _ q => hF a c q)⟩
  · by_cases e : j = i
    · subst e
      show RepC Z f' A N cs' j (va_up (gR S) j R j)
      rw [va_s]
      exact hR
    · show RepC Z f' A N cs' j (va_up (gR S) i R j)
      rw [va_n e]
      exact (h5 j hj).fm hF (fun k hw => hk k (by simp only [W5] at *; omega))
