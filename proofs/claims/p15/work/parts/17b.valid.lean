/-! CLASSES AND EXCEPTIONS HOLD -/
def nXk : Nat → Nat × ByteArray := fun x => match x with
  | 3 => (13, ⟨#[0x2a, 0x2b, 0xb7, 0x00, 0x0d, 0xb1]⟩)
  | _ => (7, ⟨#[0x2a, 0x2b, 0xb7, 0x00, 0x07, 0xb1]⟩)
set_option maxRecDepth 100000 in
theorem nCl_ok : nCl.all (kCl (kM nTb)) = true := by decide +kernel
set_option maxRecDepth 100000 in
theorem nO0 : kOwn (kM nTb) (nEX 0) (nXk 0) = true := by decide +kernel
set_option maxRecDepth 100000 in
theorem nO1 : kOwn (kM nTb) (nEX 1) (nXk 1) = true := by decide +kernel
set_option maxRecDepth 100000 in
theorem nO2 : kOwn (kM nTb) (nEX 2) (nXk 2) = true := by decide +kernel
set_option maxRecDepth 100000 in
theorem nO3 : kOwn (kM nTb) (nEX 3) (nXk 3) = true := by decide +kernel
