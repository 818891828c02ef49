/-! ===== where the law starts: the two objects as their constructors leave them ===== -/
def zH0 : MH := (fun _ _ => 0, fun _ _ => 0, fun _ _ => 0, 0)
def hS1 : MH := hX10 (zNw zH0)
def hS2 : MH := hX11 (zNw hS1)
def bN : BK := ((0, fun _ => 0, fun _ _ => 0, fun _ => 0, fun _ => 0), fun _ => pNil)
def sN : SS := (bN, (0, fun _ => 0), (nI 0, -(nI 1)), fun _ => none, fun _ => none)
theorem zvh_0 : zvh zH0 := fun o k h1 h2 _ => by
  have h2' : o ≤ 0 := h2
  omega
theorem hS1_n : hS1.2.2.2 = 110 := rfl
theorem hS2_n : hS2.2.2.2 = 142 := rfl
theorem hS1_v : zvh hS1 := vX10 (h := zNw zH0) (fun i hi => rfl) (zvh_N zvh_0)
def stT (f : Nat → Nat → Nat) (o : Nat) : Bool := (List.range 60).all (fun k => !(zir o k) || (if zmu o k = true then Nat.ble (f o k) 142 else Nat.beq (f o k) (zR0 o k)))
theorem stT_ok : (List.range 142).all (fun o => stT hS2.2.2.1 (o + 1)) = true := by decide +kernel
theorem stT_46 (k : Nat) : hS2.2.2.1 46 k = 0 := rfl
theorem zir_mu : (List.range 142).all (fun o => Nat.beq (o + 1) 46 || Nat.ble (zN (zk (o + 1)).1) 60) = true := by decide +kernel
