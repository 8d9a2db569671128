abbrev wC7 (fr lo fa ki mo : Nat → Int32) (pe ch sty wset wfor law lent pict tn brs bst : Int32) : List va_E :=
  [.inr (5, [.ref 1, .ref 7, .int pict, .ref 13, .ref 17, .int tn, .ref 18, .ref 19, .int brs, .int bst, .ref 36, .ref 37, .ref 38, .ref 39]),
   .inr (1, [.ref 2, .ref 3, .ref 4, .int pe, .ref 5, .ref 6, .int ch, .int sty, .int wset, .int wfor, .int law, .int lent]),
   iA 5 fr,
   iA 5 lo,
   iA 5 fa,
   iA 6 ki,
   iA 6 mo]
