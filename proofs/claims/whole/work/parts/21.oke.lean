section OKE
variable {own : String} {cc : ByteArray} {nL : Nat} {ret : Option FieldType} {nm : String} {lg : Bool} {pc : Nat}
/-- the exception that is made once -/
theorem ok_newE {ix : Nat} (hd : decode cc pc = .ok (.new ix, 3)) : Okp own cc nL ret nm lg pc (sNew 0 6 (pc + 3)) := sorry
theorem ok_ctE {ix : Nat} (hd : decode cc pc = .ok (.invokespecial ix, 3)) : Okp own cc nL ret nm lg pc (sCt (pc + 3)) := sorry
end OKE
